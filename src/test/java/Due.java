import java.util.ArrayList;
import java.util.List;

/** Calls of one object whose answers are known: every one that is not due is told. */
public class Due {
    public static final String ARGUMENT = "throws.IllegalArgumentException";
    public static final String STATE = "throws.IllegalStateException";
    public static final String INDEX = "throws.IndexOutOfBoundsException";
    public static final String ELEMENT = "throws.NoSuchElementException";
    // what an object answers behind so many calls is free
    private static final int MOST_CALLS = 512;
    private RepeatFree program = new RepeatFree();
    private String about = "";
    private int calls = 0;
    private int taped = 0;
    private int wrong = 0;

    protected void promise(int number) {
        about = "promise " + number;
        fresh();
    }

    /** One case at a bound that the document names, on a new object. */
    protected void edge(int number, String sentence) {
        about = "promise " + number + ", " + sentence;
        fresh();
    }

    /** One case at a bound that a Term names, on a new object. */
    protected void term(int number, String sentence) {
        about = "Terms " + number + ", " + sentence;
        fresh();
    }

    protected void fresh() {
        program = new RepeatFree();
        calls = 0;
        taped = 0;
    }

    /** A new object that has read a text (an empty one: that has read none). */
    protected void on(String text) {
        fresh();
        if (!text.isEmpty()) {
            put(text);
            due(Integer.parseInt(text.split("letters")[1].split(";")[0].trim()), "read");
        }
    }

    protected void tell(String word) {
        put(word);
        due(word.trim().length(), "word");
    }

    /** The TAPE has these bytes. */
    protected void put(String text) {
        ask("end", 0);
        for (long[] numbers : Ask.feeds(text)) {
            ask("feed", numbers);
        }
        ask("end", text.length());
        taped = text.length();
    }

    /** The TAPE has so many bytes. */
    protected void isTaped(int size) {
        due(false, "end", size + 1);
        due(true, "end", size);
    }

    /** THE WORD is this one. */
    protected void is(String word) {
        due(word.length(), "count", 4);
        for (int i = 0; i < word.length(); i++) {
            due(word.charAt(i) - 'a', "letter", i);
        }
        due(-1, "letter", word.length());
    }

    /**
     * On an object that has read a text, with THE WORD told and two bytes on its TAPE, a call throws; and all is
     * as it was: what was read, THE WORD, the TAPE, the ACTS.
     */
    protected void refuses(String text, String word, String exception, String call, long... numbers) {
        on(text);
        tell(word);
        put("ba");
        List<String> before = seen();
        due(exception, call, numbers);
        isAs(before, seen(), call, numbers);
        due(2, "word");
        is("ba");
        due(1, "undo");
        is(word);
        due(0, "undo");
        is("");
    }

    /** Behind a call all answers are as they were ahead of it. */
    protected void isAs(List<String> before, List<String> after, String call, long... numbers) {
        if (!before.equals(after)) {
            complain(call, numbers, "left " + after + ", due is " + before);
        }
    }

    /** What can be seen without anything being changed by it. */
    protected List<String> seen() {
        List<String> seen = new ArrayList<>();
        for (int what = 0; what <= 8; what++) {
            seen.add(ask("count", what));
        }
        int letters = Integer.parseInt(seen.get(0));
        for (int map = 0; map < Integer.parseInt(seen.get(1)); map++) {
            for (int letter = 0; letter < letters; letter++) {
                int size = Integer.parseInt(ask("imaged", map, letter, -1));
                for (int k = 0; k < size; k++) {
                    seen.add(ask("imaged", map, letter, k));
                }
            }
        }
        for (int pattern = 0; pattern < Integer.parseInt(seen.get(2)); pattern++) {
            for (int what = 0; what <= 2; what++) {
                seen.add(ask("pattern", pattern, what));
            }
        }
        for (int place = 0; place < Integer.parseInt(seen.get(4)); place++) {
            seen.add(ask("letter", place));
        }
        seen.add(ask("fault"));
        seen.add(ask("end", taped + 1));
        seen.add(ask("end", taped));
        return seen;
    }

    protected void due(Object want, String call, long... numbers) {
        String got = ask(call, numbers);
        if (!got.equals(String.valueOf(want))) {
            complain(call, numbers, "answered " + got + ", due is " + want);
        }
    }

    protected String ask(String call, long... numbers) {
        calls++;
        if (calls > MOST_CALLS) {
            complain(call, numbers, "is call " + calls + ": what it answers is free");
        }
        return Ask.of(program, call, numbers);
    }

    private void complain(String call, long[] numbers, String why) {
        wrong++;
        StringBuilder line = new StringBuilder(about + ": " + call + "(");
        for (int i = 0; i < numbers.length; i++) {
            line.append(i > 0 ? ", " : "").append(numbers[i]);
        }
        System.out.println(line + ") " + why);
    }

    protected void close(String name) {
        System.out.println(name + (wrong == 0 ? ": all answers are as due" : ": " + wrong + " answers are not as due"));
        if (wrong != 0) {
            System.exit(1);
        }
    }
}
