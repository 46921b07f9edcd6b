import java.lang.reflect.InvocationTargetException;
import java.lang.reflect.Method;
import java.util.Arrays;
import java.util.Comparator;
import java.util.List;
import java.util.Objects;

/** What the tests have in common; a test is a static method with the sentence that it is for. */
abstract class Check {
    static final Class<?> STATE = IllegalStateException.class;
    static final Class<?> INDEX = IndexOutOfBoundsException.class;
    static final Class<?> ARGUMENT = IllegalArgumentException.class;

    private static String sentence = "";
    private static int asked = 0;
    private static int wrong = 0;

    interface Call {
        Object answer();
    }

    /** The answer, or the class of the exception. */
    static Object answer(Call call) {
        try {
            return call.answer();
        } catch (RuntimeException e) {
            return e.getClass();
        }
    }

    static void due(String what, Object got, Object want) {
        asked++;
        if (!Objects.equals(got, want)) {
            complain(what + " answered " + got + ", due is " + want);
        }
    }

    static void due(String what, long got, long want) {
        due(what, (Object) got, (Object) want);
    }

    private static void complain(String complaint) {
        wrong++;
        System.out.println(sentence + ": " + complaint);
    }

    /** The call throws exactly that class, and changes nothing. */
    static void refused(Book book, String what, Class<?> want, Call call) {
        List<Object> before = book.state();
        due(what, answer(call), want);
        due(what + " changed nothing", book.state(), before);
    }

    static void answers(String what, Call call) {
        due(what + " is answered", answer(call) instanceof Class, false);
    }

    static void pageIs(Book book, int page, long... want) {
        due("page " + page, Words.text(book.page(page)), Words.text(want));
    }

    static void rootIs(Book book, int root, long... want) {
        due("root " + root, Words.text(book.root(root)), Words.text(want));
    }

    static void leafIs(Book book, int root, int k, long... want) {
        due("leaf " + k + " of root " + root, Words.text(book.leafWords(root, k)), Words.text(want));
    }

    /** Runs the class's tests; ends the program with 1 if an answer was not as due. */
    static void run(Class<?> tests) {
        int ran = 0;
        Method[] methods = tests.getDeclaredMethods();
        Arrays.sort(methods, Comparator.comparing(Method::getName));
        for (Method method : methods) {
            if (method.isAnnotationPresent(Says.class)) {
                sentence = method.getName() + " (" + method.getAnnotation(Says.class).value() + ")";
                run(method);
                ran++;
            }
        }
        System.out.println(ran + " tests, " + asked + " answers, " + wrong + " not as due");
        if (wrong != 0 || ran == 0) {
            System.exit(1);
        }
    }

    private static void run(Method test) {
        try {
            test.setAccessible(true);
            test.invoke(null);
        } catch (InvocationTargetException e) {
            complain("ended with " + e.getCause());
        } catch (IllegalAccessException e) {
            complain("can't be run: " + e);
        }
    }
}
