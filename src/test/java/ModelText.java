import java.util.ArrayList;
import java.util.List;

/** A town's text for the model: cut into tokens first, then gone through by what is due at each. */
final class ModelText {
    private record Token(int place, String text) {
        boolean isNumber() { return !text.isEmpty() && Character.isDigit(text.charAt(0)); }
    }

    int number = 0, place = -1, corners, odds;
    final Model.State state = new Model.State();

    ModelText(String all) {
        List<Token> tokens = tokens(all);
        if (tokens.size() == 1) return;
        int i = 0;
        while (number == 0 && i < tokens.size() - 1) {
            checkWord(tokens.get(i));
            for (int k = 1; k <= 3 && number == 0; k++) {
                Token token = tokens.get(Math.min(i + k, tokens.size() - 1));
                boolean fits = k < 3 ? token.isNumber() : token.text.equals(";");
                if (!fits) blame(1, token.place);
                else if (k < 3) checkNumber(tokens.get(i).text, k, token, tokens.get(i + 1));
            }
            if (number == 0) takeClause(tokens.get(i).text, tokens.get(i + 1).text, tokens.get(i + 2).text);
            i += 4;
        }
    }

    private static List<Token> tokens(String all) {
        List<Token> tokens = new ArrayList<>();
        int i = 0;
        while (i < all.length()) {
            int from = i;
            while (i < all.length() && all.charAt(i) >= '0' && all.charAt(i) <= '9') i++;
            if (i > from) tokens.add(new Token(from, all.substring(from, i)));
            else if (all.charAt(i) == ' ') i++;
            else tokens.add(new Token(i, all.substring(i, ++i)));
        }
        tokens.add(new Token(all.length(), ""));
        return tokens;
    }

    private void blame(int fault, int at) {
        number = fault;
        place = at;
    }

    private void checkWord(Token word) {
        boolean first = corners == 0;
        if (!List.of("t", "c", "f").contains(word.text)) blame(1, word.place);
        else if (first != word.text.equals("t")) blame(first ? 1 : 3, word.place);
        else if (word.text.equals("c") && state.cabs.size() == 8) blame(3, word.place);
    }

    private void checkNumber(String word, int k, Token token, Token firstNumber) {
        String figures = token.text;
        if (figures.length() > 6) {
            blame(2, token.place);
            return;
        }
        int value = Integer.parseInt(figures);
        int cars = state.cabs.size();
        boolean good = switch (word + k) {
            case "t1" -> value >= 1 && value <= 9;
            case "t2" -> value <= 100;
            case "c1" -> value < corners;
            case "c2" -> figures.chars().allMatch(f -> f >= '1' && f <= '0' + corners);
            default -> value < cars;
        };
        if (!good) blame(2, token.place);
        else if (word.equals("f") && k == 1 && state.cabs.get(value).follows != -1) blame(4, token.place);
        else if (word.equals("f") && k == 2 && value == Integer.parseInt(firstNumber.text)) blame(4, token.place);
    }

    private void takeClause(String word, String a, String b) {
        if (word.equals("t")) {
            corners = Integer.parseInt(a);
            odds = Integer.parseInt(b);
        } else if (word.equals("c")) {
            Model.Cab cab = new Model.Cab();
            cab.corner = Integer.parseInt(a);
            cab.round = b;
            state.cabs.add(cab);
        } else {
            state.cabs.get(Integer.parseInt(a)).follows = Integer.parseInt(b);
        }
    }
}
