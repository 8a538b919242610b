/** Feeds texts to an office: a text is laid on THE TAPE in feeds of twenty bytes, blanks behind it. */
final class Desk {
    final CountOffice x = new CountOffice();

    static Desk with(String book) {
        Desk desk = new Desk();
        if (desk.book(book) == CountOffice.NONE) {
            throw new IllegalStateException("no BOOK: " + book);
        }
        return desk;
    }

    int feed(String text) {
        int answer = x.count(10);
        for (int at = 0; at < text.length(); at += 20) {
            answer = x.feed(four(text, at), four(text, at + 4), four(text, at + 8), four(text, at + 12),
                    four(text, at + 16));
        }
        return answer;
    }

    private static int four(String text, int at) {
        int number = 0;
        for (int k = at; k < at + 4; k++) {
            number = number << 8 | (k < text.length() ? text.charAt(k) & 255 : ' ');
        }
        return number;
    }

    int book(String text) {
        feed(text);
        return x.book(text.length());
    }

    int table(String text) {
        feed(text);
        return x.table(text.length());
    }

    int row(int... values) {
        int[] six = new int[6];
        System.arraycopy(values, 0, six, 0, values.length);
        return x.row(six[0], six[1], six[2], six[3], six[4], six[5]);
    }

    void rows(int times, int... values) {
        for (int k = 0; k < times; k++) {
            row(values);
        }
    }
}
