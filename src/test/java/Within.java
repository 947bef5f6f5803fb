import java.util.Arrays;

/** Runs the main method of a test, and ends it as failed if it does not end by itself. */
final class Within {
    private static final long SECONDS = 300;

    private Within() {
    }

    public static void main(String[] args) throws ReflectiveOperationException {
        Thread watch = new Thread(() -> endLate(args[0]));
        watch.setDaemon(true);
        watch.start();
        String[] rest = Arrays.copyOfRange(args, 1, args.length);
        Class.forName(args[0]).getMethod("main", String[].class).invoke(null, (Object) rest);
    }

    private static void endLate(String test) {
        try {
            Thread.sleep(SECONDS * 1000);
        } catch (InterruptedException e) {
            Thread.currentThread().interrupt();
        }
        System.out.println(test + " did not end in " + SECONDS + " seconds");
        Runtime.getRuntime().halt(1);
    }
}
