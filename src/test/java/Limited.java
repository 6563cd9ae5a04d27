import java.lang.reflect.InvocationTargetException;

/** Runs a test's main method and ends it with exit code 1 when it takes too long: a call that never ends is wrong, too. */
public final class Limited {
    private static final long MILLISECONDS = 300_000;

    public static void main(String[] args) throws ReflectiveOperationException {
        String test = args[0];
        Thread watch = new Thread(() -> {
            try {
                Thread.sleep(MILLISECONDS);
            } catch (InterruptedException e) {
                return;
            }
            System.out.println(test + " does not end");
            Runtime.getRuntime().halt(1);
        });
        watch.setDaemon(true);
        watch.start();
        try {
            Class.forName(test).getMethod("main", String[].class).invoke(null, (Object) new String[0]);
        } catch (InvocationTargetException e) {
            e.getCause().printStackTrace();
            System.exit(1);
        }
    }
}
