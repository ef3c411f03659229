/** Numbers that look like chance, the same ones at every run. */
public final class Chance {
    private long state;

    public Chance(long seed) {
        state = seed * 2862933555777941757L + 3037000493L;
    }

    public int below(int bound) {
        state = state * 6364136223846793005L + 1442695040888963407L;
        return (int) ((state >>> 33) % bound);
    }

    public boolean once(int in) {
        return below(in) == 0;
    }

    public String one(String... of) {
        return of[below(of.length)];
    }

    public String letters(String alphabet, int size) {
        StringBuilder made = new StringBuilder();
        for (int i = 0; i < size; i++) {
            made.append(alphabet.charAt(below(alphabet.length())));
        }
        return made.toString();
    }
}
