/** Calls of one object whose answers are known: every one that is not due is told. */
public class Due {
    public static final String ARGUMENT = "throws.IllegalArgumentException";
    public static final String STATE = "throws.IllegalStateException";
    public static final String INDEX = "throws.IndexOutOfBoundsException";
    public static final String ELEMENT = "throws.NoSuchElementException";
    private RepeatFree program = new RepeatFree();
    private String about = "";
    private int wrong = 0;

    protected void promise(int number) {
        about = "promise " + number;
        fresh();
    }

    protected void fresh() {
        program = new RepeatFree();
    }

    /** A new object that has read a text. */
    protected void on(String text) {
        fresh();
        Ask.put(program, text);
        due(Integer.parseInt(text.split("letters")[1].split(";")[0].trim()), "read");
    }

    protected void tell(String word) {
        due(true, "end", 0);
        Ask.put(program, word);
        due(word.trim().length(), "word");
    }

    protected void put(String text) {
        due(true, "end", 0);
        Ask.put(program, text);
    }

    /** THE WORD is this one. */
    protected void is(String word) {
        due(word.length(), "count", 4);
        for (int i = 0; i < word.length(); i++) {
            due(word.charAt(i) - 'a', "letter", i);
        }
    }

    protected void due(Object want, String call, long... numbers) {
        String got = Ask.of(program, call, numbers);
        if (!got.equals(String.valueOf(want))) {
            wrong++;
            StringBuilder line = new StringBuilder(about + ": " + call + "(");
            for (int i = 0; i < numbers.length; i++) {
                line.append(i > 0 ? ", " : "").append(numbers[i]);
            }
            System.out.println(line + ") answered " + got + ", due is " + want);
        }
    }

    protected void close(String name) {
        System.out.println(name + (wrong == 0 ? ": all answers are as due" : ": " + wrong + " answers are not as due"));
        if (wrong != 0) {
            System.exit(1);
        }
    }
}
