/** Compares answers with those that are due, and counts the wrong ones of one test program. */
final class Due {
    private static int checks = 0;
    private static int wrong = 0;
    private static String sentence = "";

    private Due() {
    }

    static void same(String call, long answer, long due) {
        checks++;
        if (answer != due) {
            report(call, "answered " + answer + ", due is " + due);
        }
    }

    static void sameDouble(String call, double answer, double due) {
        checks++;
        if (Double.compare(answer, due) != 0) {
            report(call, "answered " + answer + ", due is " + due);
        }
    }

    static void sameText(String call, String answer, String due) {
        checks++;
        if (!answer.equals(due)) {
            report(call, "answered " + answer + ", due is " + due);
        }
    }

    static void outOfSlots(String call, Runnable run) {
        refused(call, run, IndexOutOfBoundsException.class);
    }

    static void badArgument(String call, Runnable run) {
        refused(call, run, IllegalArgumentException.class);
    }

    static void badState(String call, Runnable run) {
        refused(call, run, IllegalStateException.class);
    }

    private static void refused(String call, Runnable run, Class<? extends RuntimeException> due) {
        checks++;
        String name = "nothing";
        try {
            run.run();
        } catch (RuntimeException e) {
            name = e.getClass().getName();
        }
        if (!name.equals(due.getName())) {
            report(call, "threw " + name + ", due is " + due.getName());
        }
    }

    private static void report(String call, String what) {
        wrong++;
        if (wrong <= 30) {
            System.out.println(sentence + call + ": " + what);
        }
    }

    /** Runs the test of one sentence; it fails, too, if it checks nothing or if a call throws. */
    static void holds(String name, Runnable test) {
        int before = checks;
        sentence = name + ": ";
        try {
            test.run();
            same("the test makes checks", checks > before ? 1 : 0, 1);
        } catch (RuntimeException e) {
            report("a call that must not throw", "threw " + e);
        }
        sentence = "";
    }

    static void finish(String test) {
        System.out.println(test + ": " + checks + " checks, " + wrong + " wrong");
        if (wrong != 0 || checks == 0) {
            System.exit(1);
        }
    }

    static void type(HalftoneScreens screens, String text) {
        for (int index = 0; index < text.length(); index++) {
            screens.append(text.charAt(index));
        }
    }
}
