import java.lang.reflect.Method;

/** Runs the main method of a test and ends it when it takes too long: a call that never ends is a fault like another. */
public final class Limited {
    private static final long MILLISECONDS = 300_000;

    private static void endLater(String test) {
        try {
            Thread.sleep(MILLISECONDS);
        } catch (InterruptedException e) {
            return;
        }
        System.out.println(test + " takes too long");
        Runtime.getRuntime().halt(1);
    }

    public static void main(String[] args) throws ReflectiveOperationException {
        Thread guard = new Thread(() -> endLater(args[0]));
        guard.setDaemon(true);
        guard.start();
        Method test = Class.forName(args[0]).getDeclaredMethod("main", String[].class);
        test.setAccessible(true);
        test.invoke(null, (Object) new String[0]);
    }
}
