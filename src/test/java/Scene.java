import java.util.ArrayList;
import java.util.Arrays;
import java.util.List;

/**
 * Calls on a new object, written as texts: "road 0 1 1 10 1 -1" (a boolean is 1 or 0), "post 0 = 0" with the answer
 * that is due, "text level 1 1;" for the feeds of a text and "rules level 1 1;" for its feeds and its rules().
 */
final class Scene {
    /** What a call answers that throws, as a text that no number is. */
    static final String NO_CELL = "java.lang.IndexOutOfBoundsException";
    static final String NO_WHAT = "java.util.NoSuchElementException";

    private static final int MOST_CALLS = 512;
    private static final List<String> QUESTIONS = questions();
    /** Asked of the tape: how much it holds, and what. */
    private static final List<String> OF_TAPE = List.of("rules 21", "rules 501", "rules 20", "fault 0", "fault 1",
        "count 3", "count 4", "count 5", "rules 1", "feed 1 2 3 4 5", "rules 20", "fault 0", "fault 1");
    private static final List<String> OF_FAULT = List.of("fault 0", "fault 1");
    /** What comes next gets the next number and finds all that it needs as it was. */
    private static final List<String> OF_NEXT = List.of("post 1", "read 0 0 5 0", "hours 1", "read 0 1 6 0",
        "world 5 3 7 2 4", "town 1 5 2 1", "shelter 9", "road 0 1 2 3 4 -1", "road 1 2 1 1 1 2", "candidate 2",
        "candidate 3", "candidate 0", "work 2 0 1", "work 3 1 1", "work 0 0 1", "work 0 0 0", "ground 3 5 1",
        "wind 3 3 3", "count 0", "count 1", "count 2", "count 6", "count 7", "count 8", "count 9", "count 10",
        "level 5", "ledOut 0 0", "ledOut 0 1", "best 1 0", "best 1 1", "cost 0", "cost 1");

    private final List<String> steps;
    private boolean judged = false;
    private List<String> asItIs = null;

    private Scene(List<String> steps) {
        this.steps = steps;
    }

    static Scene of(String... steps) {
        return new Scene(List.of(steps));
    }

    Scene and(String... more) {
        List<String> all = new ArrayList<>(steps);
        all.addAll(Arrays.asList(more));
        return new Scene(all);
    }

    Scene times(int n, String step) {
        List<String> all = new ArrayList<>(steps);
        for (int i = 0; i < n; i++) {
            all.add(step);
        }
        return new Scene(all);
    }

    VolcanoWatch make() {
        VolcanoWatch x = new VolcanoWatch();
        for (String step : steps) {
            perform(x, step);
        }
        judged = true;
        return x;
    }

    /** How many calls the object has had when it is made. */
    private int calls() {
        int sum = 0;
        for (String step : steps) {
            String text = step.substring(step.indexOf(' ') + 1);
            int feeds = (text.length() + 19) / 20;
            sum += step.startsWith("text ") ? feeds : isText(step) ? feeds + 1 : 1;
        }
        return sum;
    }

    private static boolean isText(String step) {
        return step.startsWith("text ") || (step.startsWith("rules ") && !step.matches("rules -?[0-9]+( = .*)?"));
    }

    private void perform(VolcanoWatch x, String step) {
        if (isText(step)) {
            String text = step.substring(step.indexOf(' ') + 1);
            Check.feed(x, text);
            if (step.startsWith("rules ") && x.rules(text.length()) == -1) {
                Check.due("rules '" + text + "' in " + steps, true, false);
            }
            return;
        }
        int equals = step.indexOf(" = ");
        String got = answer(x, equals < 0 ? step : step.substring(0, equals));
        if (equals >= 0 && !judged) {
            Check.due(step + " in " + steps, got, step.substring(equals + 3));
        }
    }

    static String answer(VolcanoWatch x, String call) {
        String[] parts = call.split(" ");
        int[] args = new int[8];
        for (int i = 1; i < parts.length; i++) {
            args[i - 1] = Integer.parseInt(parts[i]);
        }
        try {
            return Long.toString(OracleFace.ask(x, parts[0], args));
        } catch (RuntimeException e) {
            return e.getClass().getName();
        }
    }

    /** The call answers so on an object of this scene. */
    void answers(String call, long due) {
        answers(call, Long.toString(due));
    }

    void answers(String call, String due) {
        Check.due(call + " behind " + this, answer(make(), call), due);
    }

    /** The call is taken: it answers something else than a refused one. */
    void takes(String call, String refusal) {
        Check.due(call + " behind " + this + " refused", answer(make(), call).equals(refusal), false);
    }

    /** The call answers so, and whatever is asked then is answered as without it. */
    void refuses(String call, long due) {
        refuses(call, Long.toString(due));
    }

    void refuses(String call, String due) {
        if (asItIs == null) {
            asItIs = inquire(null, null, true);
        }
        compare(call, asItIs, inquire(call, due, true));
    }

    /** rules() finds a FAULT: nothing has changed but what fault() answers and the tape, which is empty. */
    void findsFault(String rules) {
        compare(rules, inquire(null, null, false), inquire(rules, "-1", false));
        and(rules).answers("rules 1", -2);
    }

    private void compare(String call, List<String> before, List<String> then) {
        for (int i = 0; i < then.size(); i++) {
            if (!then.get(i).equals(before.get(i))) {
                Check.due(call + " behind " + this + " changed something: " + then.get(i), before.get(i), then.get(i));
                return;
            }
        }
    }

    private List<String> inquire(String call, String due, boolean ofTapeToo) {
        List<String> answers = new ArrayList<>();
        int atOnce = MOST_CALLS - calls() - 1;
        for (int from = 0; from < QUESTIONS.size(); from += atOnce) {
            ask(call, due, QUESTIONS.subList(from, Math.min(from + atOnce, QUESTIONS.size())), answers);
        }
        ask(call, due, OF_NEXT, answers);
        if (ofTapeToo) {
            ask(call, due, OF_FAULT, answers);
            ask(call, due, OF_TAPE, answers);
        }
        return answers;
    }

    private void ask(String call, String due, List<String> asked, List<String> answers) {
        VolcanoWatch x = make();
        if (call != null) {
            Check.due(call + " behind " + this, answer(x, call), due);
        }
        for (String question : asked) {
            answers.add(question + " -> " + answer(x, question));
        }
    }

    @Override
    public String toString() {
        String all = String.join("; ", steps);
        return all.length() > 300 ? all.substring(0, 140) + " .. " + all.substring(all.length() - 140) : all;
    }

    private static List<String> questions() {
        List<String> all = new ArrayList<>();
        for (int what = 0; what <= 10; what++) {
            all.add("count " + what);
        }
        all.addAll(List.of("cost 0", "cost 1"));
        for (int i = 0; i < 8; i++) {
            all.add("warned " + i);
            for (int hour : new int[] {0, 1, 5, 99}) {
                all.add("reading " + i + " " + hour + " 0");
                all.add("reading " + i + " " + hour + " 5");
                all.add("reading " + i + " " + hour + " 99");
            }
        }
        for (int hour = 0; hour <= 99; hour += hour < 12 ? 1 : 3) {
            all.add("level " + hour);
            all.add("raw " + hour + " 5");
        }
        for (int i = 0; i < 12; i++) {
            all.add("tries " + i + " 5 5");
            all.add("tries " + i + " 99 99");
        }
        for (int cell = 0; cell < 64; cell++) {
            for (int what = 0; what <= 2; what++) {
                all.add("look " + cell + " " + what);
            }
        }
        for (int world = 0; world < 3; world++) {
            questionsOfWorld(world, all);
        }
        for (int m = 0; m <= 2; m++) {
            for (int what = 0; what <= 4; what++) {
                all.add("best " + m + " " + what);
            }
        }
        return all;
    }

    private static void questionsOfWorld(int world, List<String> all) {
        for (int cell = 0; cell < 20; cell++) {
            all.add("reached " + world + " " + cell);
            all.add("ash " + world + " " + cell);
            all.add("lava " + world + " 0 " + cell + " 1");
            all.add("lava " + world + " 4 " + cell + " 0");
            all.add("lava " + world + " 12 " + cell + " 1");
        }
        for (int what = 0; what <= 2; what++) {
            all.add("ledOut " + world + " " + what);
        }
        for (int place = 0; place < 8; place++) {
            for (int hour : new int[] {0, 7, 8, 9, 20, 21, 32, 33}) {
                all.add("cut " + world + " " + place + " " + hour);
            }
        }
    }
}
